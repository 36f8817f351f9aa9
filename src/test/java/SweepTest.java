import java.util.Random;

/** RATIO and what goes by it, for many nets with small gaps, whose RATIOS often aren't whole. Arguments: how many nets, seed. */
public final class SweepTest {
    private static int[] shuffled(Random random) {
        int[] order = {0, 1, 2, 3, 4, 5};
        for (int i = 5; i > 0; i--) {
            int j = random.nextInt(i + 1);
            int was = order[i];
            order[i] = order[j];
            order[j] = was;
        }
        return order;
    }

    public static void main(String[] args) {
        int nets = args.length > 0 ? Integer.parseInt(args[0]) : 600;
        Random random = new Random(args.length > 1 ? Long.parseLong(args[1]) : 7);
        int wrong = 0;
        int broken = 0;
        for (int net = 0; net < nets; net++) {
            CircleTints x = new CircleTints();
            NaiveTints y = new NaiveTints();
            StringBuilder told = new StringBuilder();
            x.points(6);
            y.points(6);
            int[] order = shuffled(random);
            int figure = 1 + random.nextInt(3);
            int lines = 5 + random.nextInt(6);
            for (int l = 0; l < lines; l++) {
                // five round, of like gaps but for one or two; then some lines that are less far
                int kind = l < 5 ? (random.nextInt(6) == 0 ? 2 : net % 2) : random.nextInt(4) == 0 ? 4 : 2;
                int a = l < 5 ? order[l] : random.nextInt(6);
                int b = l < 5 ? order[(l + 1) % 5] : random.nextInt(6);
                int its = l < 5 ? figure : 1 + random.nextInt(figure);
                told.append(" line(").append(kind).append(", ").append(its).append(", ").append(a).append(", ").append(b).append(')');
                x.line(kind, its, a, b);
                y.line(kind, its, a, b);
            }
            int turn = random.nextInt(1 << x.count(1));
            int line = random.nextInt(Math.max(1, x.count(1)));
            long[] got = {x.ratio(0), x.ratio(1), x.whole(), x.off(0), x.off(1), x.turns(0), x.turns(1), x.turns(2), x.rate(turn, 0),
                x.rate(turn, 1), x.worst(turn), x.binds(), x.room(line), x.rings()};
            long[] due = {y.ratio(0), y.ratio(1), y.whole(), y.off(0), y.off(1), y.turns(0), y.turns(1), y.turns(2), y.rate(turn, 0),
                y.rate(turn, 1), y.worst(turn), y.binds(), y.room(line), y.rings()};
            if (due[1] > 1) broken++;
            for (int i = 0; i < got.length; i++) {
                if (got[i] != due[i]) {
                    wrong++;
                    System.out.println("net" + told + ": answer " + i + " (turn " + turn + ", line " + line + ") is " + got[i] + ", due is " + due[i]);
                }
            }
        }
        System.out.println(nets + " nets, " + broken + " with a RATIO that isn't whole, " + wrong + " answers not as due");
        if (wrong != 0) System.exit(1);
    }
}
