import java.nio.charset.StandardCharsets;
import java.util.Arrays;
import java.util.NoSuchElementException;
import java.util.Random;
import java.util.TreeMap;

/** Random runs of calls on OptionBench and on the Model of the document: every answer must be the same. */
public final class ModelTest {
    private static final int RUNS = 700;
    private static final long SEED = 20261118L;

    private interface Call {
        long answer();
    }

    private final Random random;
    private final int run;
    private final OptionBench bench = new OptionBench();
    private final Model model = new Model();
    private final StringBuilder told = new StringBuilder();
    private int calls = 0;
    private static int wrong = 0;
    private static final TreeMap<String, Integer> tally = new TreeMap<>();

    private ModelTest(int run) {
        this.run = run;
        this.random = new Random(SEED + run);
    }

    private static String said(Call call) {
        try {
            return Long.toString(call.answer());
        } catch (NoSuchElementException e) {
            return "throws NoSuchElementException";
        } catch (RuntimeException e) {
            return "throws " + e;
        }
    }

    private void same(String what, Call got, Call due) {
        calls++;
        String g = said(got);
        String d = said(due);
        tally.merge(what.substring(0, what.indexOf('(')), 1, Integer::sum);
        if (!g.equals(d)) {
            wrong++;
            if (wrong < 30) {
                System.out.println("run " + run + ": " + what + " answered " + g + ", due is " + d + told);
            }
        }
    }

    private int upTo(int most) {
        return random.nextInt(most + 1);
    }

    private int pick(int... of) {
        return of[random.nextInt(of.length)];
    }

    private String one(String... of) {
        return of[random.nextInt(of.length)];
    }

    /** Mostly within, now and then just outside or far away. */
    private int around(int low, int high) {
        int roll = upTo(39);
        if (roll == 0) {
            return low - 1;
        }
        if (roll == 1) {
            return high + 1;
        }
        if (roll == 2) {
            return pick(Integer.MIN_VALUE, Integer.MAX_VALUE, -1000, 1000, 31, 32, 33, 1 << 20);
        }
        return low + random.nextInt(Math.max(1, high - low + 1));
    }

    // ---- texts ----

    private String benchText(int mostSteps) {
        StringBuilder text = new StringBuilder();
        int first = pick(100, 20 + upTo(40), 10 + upTo(10), upTo(999));
        int width = 2;
        if (upTo(5) == 0) {
            first = 100;
        } else {
            width = 2 + upTo(7);
            text.append("stock ").append(first).append(' ').append(width).append(';');
        }
        int steps = upTo(mostSteps);
        int left = first;
        int there = 0;
        StringBuilder options = new StringBuilder();
        while (there < steps) {
            if (upTo(3) == 0) {
                text.append("cash ").append(1 + upTo(upTo(3) == 0 ? 98 : 5)).append(';');
            }
            int fall = 1 + random.nextInt(width - 1);
            int times = upTo(1) == 0 ? 1 : 1 + upTo(steps - there - 1);
            if (left < fall * times) {
                break;
            }
            text.append("step ").append(fall);
            if (times > 1 || upTo(5) == 0) {
                text.append(" times ").append(times);
            }
            text.append(';');
            left -= fall * times;
            there += times;
        }
        if (upTo(3) == 0) {
            text.append("cash ").append(1 + upTo(8)).append(';');
        }
        int many = upTo(4);
        for (int k = 0; k < many; k++) {
            options.append(optionText(k, first, width, there));
        }
        return text.append(options).toString();
    }

    private int near(int first, int width, int steps) {
        return Math.max(0, Math.min(999, first + upTo(2 * width + 4) - width - 2 + upTo(steps) - steps / 2));
    }

    private String optionText(int k, int first, int width, int steps) {
        String[] names = {"a", "bb", "callx", "longname"};
        StringBuilder o = new StringBuilder("option ").append(names[k]).append(' ');
        int strike = near(first, width, steps);
        int kind = upTo(k == 0 ? 4 : 7);
        if (kind == 0) {
            o.append("call ").append(strike);
        } else if (kind == 1) {
            o.append("put ").append(strike);
        } else if (kind == 2) {
            o.append("digit ").append(strike).append(' ').append(1 + upTo(20));
        } else if (kind == 3) {
            strike = Math.min(strike, 990);
            o.append("spread ").append(strike).append(' ').append(strike + 1 + upTo(8));
        } else if (kind == 4) {
            o.append("either ").append(strike);
        } else {
            o.append("over ").append(names[upTo(k - 1)]).append(' ').append(upTo(5));
        }
        o.append(one("", " once", " any", " any", " from " + upTo(12), " from " + upTo(steps)));
        int level = near(first, width, steps);
        o.append(one("", "", " out " + one("above ", "below ") + level,
            " out " + one("above ", "below ") + level + " rebate " + upTo(9),
            " in " + one("above ", "below ") + level, " in " + one("above ", "below ") + level));
        o.append(one("", "", " recall " + (1 + upTo(3)), " recall 1"));
        return o.append(';').toString();
    }

    private String spoilt(String text) {
        StringBuilder s = new StringBuilder(text);
        int times = 1 + upTo(1);
        for (int i = 0; i < times; i++) {
            int place = upTo(s.length());
            switch (upTo(9)) {
                case 0:
                    s.setLength(place);
                    break;
                case 1:
                    s.insert(place, one(";", "5", "a", " ", "!", "A", "\0", "\u00e9", "1000", "0", " 0 ", "9"));
                    break;
                case 2:
                    s.insert(place, one(" step 1;", "stock 5 5;", "cash 5;", "option q call 3;", "option a put 1;"));
                    break;
                case 3:
                case 4:
                    if (place < s.length()) {
                        s.deleteCharAt(place);
                    }
                    break;
                case 5:
                    s.append(one("step 1 times 12;", "step 1;", "cash 0;", "cash 100;", "cash 3;", "cash 3;cash 4;",
                        "option z over y 1;", "option z over z 1;", "option z in call 3;", "option over over a 3;",
                        "option z over a 3 in above 5 rebate 3;", "option zzzzzzzzz call 3;", "step 1 times;",
                        "option z spread 999 999;", "option z digit 5 100;", "option z put 5 from 13;", "bench;",
                        "option z put 5 out above 3 rebate 100;", "option z put 5 recall 100;", ";", "step 1 ;",
                        "option z put 5 any once;", "option z put 5 recall 3 any;", "step 1 times 0;", "step 01;"));
                    break;
                case 6:
                    replaceWord(s, place);
                    break;
                case 7:
                    swapWords(s);
                    break;
                case 8:
                    while (s.length() < 495 + upTo(20)) {
                        s.append(' ');
                    }
                    break;
                default:
                    s.insert(place, "  ");
                    break;
            }
        }
        return s.toString();
    }

    private void replaceWord(StringBuilder s, int place) {
        int from = s.lastIndexOf(" ", place);
        int to = s.indexOf(" ", Math.max(0, from + 1));
        if (from >= 0 && to > from) {
            s.replace(from + 1, to, one("times", "above", "0", "999", "12", "13", "x", "once", "any", "recall", "7"));
        }
    }

    private void swapWords(StringBuilder s) {
        String[] words = s.toString().split(" ");
        int a = random.nextInt(Math.max(1, words.length));
        int b = random.nextInt(Math.max(1, words.length));
        if (words.length > 0) {
            String w = words[a];
            words[a] = words[b];
            words[b] = w;
            s.setLength(0);
            s.append(String.join(" ", words));
        }
    }

    // ---- calls ----

    private void feedText(String text) {
        byte[] bytes = text.getBytes(StandardCharsets.ISO_8859_1);
        byte[] padded = Arrays.copyOf(bytes, (bytes.length + 19) / 20 * 20);
        for (int i = 0; i < padded.length; i += 20) {
            int[] n = new int[5];
            for (int b = 0; b < 20; b++) {
                n[b / 4] = n[b / 4] << 8 | padded[i + b] & 255;
            }
            same("feed()", () -> bench.feed(n[0], n[1], n[2], n[3], n[4]), () -> model.feed(n));
        }
        int length = bytes.length;
        same("end(" + length + ")", () -> bench.end(length) ? 1 : 0, () -> model.end(length) ? 1 : 0);
        told.append("\n   text: ").append(text);
    }

    private void readBench() {
        same("bench()", bench::bench, model::bench);
        same("fault()", bench::fault, () -> model.fault);
    }

    private void askFraction(String what, int part, java.util.function.IntToLongFunction got,
            java.util.function.IntToLongFunction due) {
        same(what + "(part " + part + ")", () -> got.applyAsLong(part), () -> due.applyAsLong(part));
    }

    private void askAnything() {
        int k = around(0, Math.max(0, model.s.opts.size() - 1));
        int t = around(0, model.steps());
        int j = around(0, Math.max(0, t > 12 ? 0 : t));
        int part = around(0, 1);
        int what = around(0, 9);
        int upper = around(0, 1);
        int price = model.s.first;
        int n = upTo(2) == 0 ? around(0, 2999) : Math.max(0, price + upTo(40) - 20);
        switch (upTo(27)) {
            case 0: same("count(" + what + ")", () -> bench.count(what), () -> model.count(what)); break;
            case 1: same("step(" + t + upper, t, upper); break;
            case 2: same("option(" + k + "," + what + ")", () -> bench.option(k, what), () -> model.option(k, what)); break;
            case 3: {
                int w = around(0, 2);
                same("price(" + t + "," + j + "," + w + ")", () -> bench.price(t, j, w), () -> model.price(t, j, w));
                break;
            }
            case 4: askFraction("pays(" + k + "," + t + "," + j, part, p -> bench.pays(k, t, j, p), p -> model.pays(k, t, j, p)); break;
            case 5: askFraction("value(" + k + "," + t + "," + j, part, p -> bench.value(k, t, j, p), p -> model.value(k, t, j, p)); break;
            case 6: askFraction("plain(" + k + "," + t + "," + j, part, p -> bench.plain(k, t, j, p), p -> model.plain(k, t, j, p)); break;
            case 7: askFraction("held(" + k + "," + t + "," + j, part, p -> bench.held(k, t, j, p), p -> model.held(k, t, j, p)); break;
            case 8: same("does(" + k + "," + t + "," + j + ")", () -> bench.does(k, t, j), () -> model.does(k, t, j)); break;
            case 9: askFraction("stands(" + k + "," + t + "," + j, part, p -> bench.stands(k, t, j, p), p -> model.stands(k, t, j, p)); break;
            case 10: same("frontier(" + k + "," + t + ")", () -> bench.frontier(k, t), () -> model.frontier(k, t)); break;
            case 11: same("ways(" + k + "," + t + "," + j + ")", () -> bench.ways(k, t, j), () -> model.ways(k, t, j)); break;
            case 12: {
                int w = around(0, 3);
                askFraction("ending(" + k + "," + t + "," + w, part, p -> bench.ending(k, t, w, p), p -> model.ending(k, t, w, p));
                break;
            }
            case 13: askFraction("life(" + k, part, p -> bench.life(k, p), p -> model.life(k, p)); break;
            case 14:
            case 15: {
                int path = around(0, (1 << model.steps()) - 1);
                int e = around(-1, model.steps());
                askFraction("gain(" + k + "," + path + "," + e, part, p -> bench.gain(k, path, e, p), p -> model.gain(k, path, e, p));
                break;
            }
            case 16: {
                int e = around(-1, model.steps());
                same("richest(" + k + "," + e + ")", () -> bench.richest(k, e), () -> model.richest(k, e));
                break;
            }
            case 17: {
                int v = upTo(3) == 0 ? around(0, 2000) : upTo(12);
                same("strike(" + k + "," + v + ")", () -> bench.strike(k, v), () -> model.strike(k, v));
                break;
            }
            case 18: askFraction("early(" + k, part, p -> bench.early(k, p), p -> model.early(k, p)); break;
            case 19:
            case 20: askFraction("worthBy(" + k + "," + n + "," + upper, part, p -> bench.worthBy(k, n, upper, p), p -> model.worthBy(k, n, upper, p)); break;
            case 21: askFraction("reach(" + n + "," + upper, part, p -> bench.reach(n, upper, p), p -> model.reach(n, upper, p)); break;
            case 22: askFraction("book(" + t + "," + j, part, p -> bench.book(t, j, p), p -> model.book(t, j, p)); break;
            case 23: askFraction("cover(" + t + "," + j + "," + upper, part, p -> bench.cover(t, j, upper, p), p -> model.cover(t, j, upper, p)); break;
            case 24: same("extreme(" + upper + ")", () -> bench.extreme(upper), () -> model.extreme(upper)); break;
            case 25:
                if (model.steps() <= 4 && price <= 110 && model.count(4) < 60) {
                    same("bestBy(" + k + "," + upper + ")", () -> bench.bestBy(k, upper), () -> model.bestBy(k, upper));
                }
                break;
            default: change(k, t, n); break;
        }
    }

    private void same(String what, int t, int upper) {
        same(what + ")", () -> bench.step(t, upper), () -> model.step(t, upper));
    }

    private void change(int k, int t, int n) {
        switch (upTo(11)) {
            case 0:
            case 1:
            case 2: {
                int many = around(-9, 9);
                same("own(" + k + "," + many + ")", () -> bench.own(k, many), () -> model.own(k, many));
                break;
            }
            case 3: {
                int to = upTo(3) == 0 ? model.s.first : upTo(3) == 0 ? around(0, 999) : n;
                same("move(" + to + ")", () -> bench.move(to), () -> model.move(to));
                break;
            }
            case 4: {
                int to = around(1, model.s.width - 1);
                same("fall(" + t + "," + to + ")", () -> bench.fall(t, to), () -> model.fall(t, to));
                break;
            }
            case 5: {
                int to = upTo(2) == 0 ? around(0, 99) : upTo(4);
                same("cash(" + t + "," + to + ")", () -> bench.cash(t, to), () -> model.cash(t, to));
                break;
            }
            case 6: {
                int to = upTo(3) == 0 ? around(0, 999) : n;
                same("restrike(" + k + "," + to + ")", () -> bench.restrike(k, to), () -> model.restrike(k, to));
                break;
            }
            case 7:
            case 8:
                same("undo()", bench::undo, model::undo);
                break;
            case 9: {
                int place = around(0, 1);
                same("image(" + place + ")", () -> bench.image(place) ? 1 : 0, () -> model.image(place) ? 1 : 0);
                break;
            }
            case 10: {
                int place = around(0, 1);
                same("restore(" + place + ")", () -> bench.restore(place) ? 1 : 0, () -> model.restore(place) ? 1 : 0);
                break;
            }
            default: {
                int length = around(0, model.tape.length);
                same("end(" + length + ")", () -> bench.end(length) ? 1 : 0, () -> model.end(length) ? 1 : 0);
                if (upTo(2) == 0) {
                    same("feed()", () -> bench.feed(n, t, k, -1, 0x20202020), () -> model.feed(n, t, k, -1, 0x20202020));
                    same("end(0)", () -> bench.end(0) ? 1 : 0, () -> model.end(0) ? 1 : 0);
                }
            }
        }
    }

    private void go() {
        int mostSteps = run % 40 == 0 ? 12 : run % 8 == 0 ? 7 : 4;
        while (calls < 480) {
            if (calls == 0 || upTo(60) == 0) {
                String text = benchText(mostSteps);
                feedText(upTo(3) == 0 ? spoilt(text) : text);
                readBench();
            }
            if (upTo(25) == 0) {
                feedText(spoilt(benchText(mostSteps)));
                readBench();
            }
            askAnything();
            if (mostSteps == 12 && model.steps() > 8 && calls > 60) {
                return;
            }
        }
    }

    public static void main(String[] args) {
        int runs = args.length > 0 ? Integer.parseInt(args[0]) : RUNS;
        for (int run = 0; run < runs; run++) {
            new ModelTest(run).go();
        }
        if (args.length > 0) {
            System.out.println(tally);
        }
        System.out.println(wrong == 0 ? "all answers are as the model's" : wrong + " answers are not as the model's");
        if (wrong != 0) {
            System.exit(1);
        }
    }
}
