import java.util.Random;

/** Long runs of mixed calls, good and bad ones, each answer held against the Reference. */
public final class RandomRunsTest {
    private static final int RUNS = 1500;
    private static final int CALLS = 512;

    private final Check check;
    private final Random random;
    private final int style;
    private final Marginalia x = new Marginalia();
    private final Reference r = new Reference();

    private RandomRunsTest(Check check, int run) {
        this.check = check;
        random = new Random(run);
        style = run % 6;
    }

    public static void main(String[] args) {
        Check check = new Check();
        for (int run = 0; run < RUNS; run++) {
            new RandomRunsTest(check, run).run(run);
        }
        check.finish();
    }

    private void run(int run) {
        for (int call = 0; call < CALLS - 2; call++) {
            one("run " + run + " call " + call + " ");
        }
        check.same("run " + run + " digest", r.digest(), x.digest());
    }

    /** Mostly from the range, now and then just outside, seldom far away. */
    private int number(int least, int most) {
        int dice = random.nextInt(60);
        if (dice == 0) {
            return least - 1;
        }
        if (dice == 1) {
            return most + 1;
        }
        if (dice == 2) {
            int[] far = {Integer.MIN_VALUE, Integer.MAX_VALUE, -7, 1000, 201, 61};
            return far[random.nextInt(far.length)];
        }
        return least + random.nextInt(Math.max(1, most - least + 1));
    }

    private int user() {
        return random.nextInt(3) == 0 ? 0 : number(0, Math.max(0, r.many(0) - 1));
    }

    private int someNote() {
        return number(0, Math.max(0, r.made() - 1));
    }

    private int place() {
        return number(0, r.length());
    }

    private int right() {
        return random.nextInt(3) > 0 ? number(2, 4) : number(0, 4);
    }

    private int fewSigns() {
        return style == 1 ? number(1, 40) : number(1, style == 4 ? 20 : 6);
    }

    private int sign() {
        return random.nextInt(3) > 0 ? number(0, 2) : number(0, 25);
    }

    private void both(String call, Check.Call due, Check.Call got) {
        check.same(call, Check.outcome(due), Check.outcome(got));
    }

    private void one(String at) {
        int kind = random.nextInt(100);
        if (r.many(0) < 3 || kind < 1) {
            int right = r.many(0) < 2 ? 4 - r.many(0) : right();
            both(at + "user", () -> r.user(right), () -> x.user(right));
        } else if (kind < 60) {
            change(at, random.nextInt(style == 2 ? 30 : style == 3 ? 16 : 24));
        } else {
            ask(at, random.nextInt(20));
        }
    }

    private void change(String at, int kind) {
        int u = user();
        int n = someNote();
        int p = place();
        int m = fewSigns();
        int s = sign();
        int c = number(0, 999);
        switch (kind) {
            case 0:
                int v = user();
                int right = v == 0 && random.nextInt(10) > 0 ? 4 : right();
                both(at + "setRight", () -> r.setRight(u, v, right), () -> x.setRight(u, v, right));
                break;
            case 1: case 2: case 3:
                both(at + "insert", () -> r.insert(u, p, m, s), () -> x.insert(u, p, m, s));
                break;
            case 4: case 5:
                both(at + "delete", () -> r.delete(u, p, m), () -> x.delete(u, p, m));
                break;
            case 6: case 7: case 8:
                int to = p + (random.nextInt(8) == 0 ? number(0, 30) : number(1, 4));
                int view = number(0, 2);
                both(at + "note", () -> r.note(u, p, to, view, c), () -> x.note(u, p, to, view, c));
                break;
            case 9: case 10: case 11:
                both(at + "reply", () -> r.reply(u, n, c), () -> x.reply(u, n, c));
                break;
            case 12:
                boolean isSettled = random.nextBoolean();
                both(at + "settle", () -> r.settle(u, n, isSettled), () -> x.settle(u, n, isSettled));
                break;
            case 13: case 14: case 20:
                both(at + "propose", () -> r.propose(u, n, m - 1, s), () -> x.propose(u, n, m - 1, s));
                break;
            case 15: case 16: case 17: case 21: case 22:
                both(at + "take", () -> r.take(u, n), () -> x.take(u, n));
                break;
            case 18:
                both(at + "heal", r::heal, x::heal);
                break;
            default:
                both(at + "remove", () -> r.remove(u, n), () -> x.remove(u, n));
                break;
        }
    }

    private void ask(String at, int kind) {
        int u = user();
        int n = someNote();
        int p = place();
        int v = number(0, r.version());
        int m = fewSigns();
        switch (kind) {
            case 0: both(at + "length", r::length, x::length); break;
            case 1: both(at + "sign", () -> r.sign(v, p), () -> x.sign(v, p)); break;
            case 2: both(at + "now", () -> r.now(v, p), () -> x.now(v, p)); break;
            case 3: both(at + "version", r::version, x::version); break;
            case 4: int w = number(0, 4); both(at + "many", () -> r.many(w), () -> x.many(w)); break;
            case 5: both(at + "right", () -> r.right(u), () -> x.right(u)); break;
            case 6: int f = number(0, 10); both(at + "ofNote", () -> r.ofNote(n, f), () -> x.ofNote(n, f)); break;
            case 7: int q = number(0, 12); both(at + "quote", () -> r.quote(n, q), () -> x.quote(n, q)); break;
            case 8: both(at + "sees", () -> r.sees(u, n), () -> x.sees(u, n)); break;
            case 9: int o = number(0, 8); both(at + "thread", () -> r.thread(n, o), () -> x.thread(n, o)); break;
            case 10: both(at + "over", () -> r.over(u, p), () -> x.over(u, p)); break;
            case 11:
                boolean isAll = random.nextBoolean();
                both(at + "export", () -> r.export(u, isAll), () -> x.export(u, isAll));
                break;
            case 12: case 13:
                int e = number(0, 20);
                int c = number(0, 3);
                both(at + "exported", () -> r.exported(e, c), () -> x.exported(e, c));
                break;
            case 14: both(at + "meanThread", r::meanThread, x::meanThread); break;
            case 15: both(at + "lostBy", () -> r.lostBy(p, m), () -> x.lostBy(p, m)); break;
            case 16: both(at + "wouldHeal", () -> r.wouldHeal(n), () -> x.wouldHeal(n)); break;
            case 17: int g = number(0, 4); both(at + "wouldSee", () -> r.wouldSee(u, g), () -> x.wouldSee(u, g)); break;
            default: both(at + "digest", r::digest, x::digest); break;
        }
    }
}
