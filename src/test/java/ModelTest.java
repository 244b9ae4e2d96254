import java.util.Random;

/** Promises 2 to 8 on texts by chance, against the model. */
public final class ModelTest {
    public static void main(String[] args) {
        int texts = args.length > 0 ? Integer.parseInt(args[0]) : 1500;
        long start = args.length > 1 ? Long.parseLong(args[1]) : 1;
        int[] seen = new int[5];
        for (long seed = start; seed < start + texts; seed++) {
            TokenFrames x = new TokenFrames();
            Model model = new Model();
            Random random = new Random(seed * 31);
            for (int turn = 0; turn < 3; turn++) {
                TextMaker maker = new TextMaker(seed * 7 + turn);
                String text = maker.make();
                if (turn == 2) {
                    text = maker.spoil(text);
                }
                if (text.length() <= 1500) {
                    compare(x, model, text, random, seen);
                }
            }
        }
        if (args.length > 0) {
            System.out.println("faults " + seen[3] + ", right " + seen[4] + ", outcomes " + seen[0] + " " + seen[1]
                    + " " + seen[2]);
        }
        for (int i = 0; i < 5; i++) {
            Check.equal("whether what may happen has happened, " + i, seen[i] > 0 ? 1 : 0, 1);
        }
        Check.end();
    }

    private static void compare(TokenFrames x, Model model, String text, Random random, int[] seen) {
        int due = model.read(text);
        seen[due < 0 ? 3 : 4]++;
        Check.equal("read of " + text, Check.read(x, text), due);
        Check.equal("definitions of " + text, x.count(4), model.definitions.size());
        for (int k = 0; k < model.definitions.size() && k < x.count(4); k++) {
            Check.equal("arguments of " + k + " in " + text, x.definition(k, 0), model.definitions.get(k).arguments.size());
            Check.equal("parts of " + k + " in " + text, x.definition(k, 1), model.definitions.get(k).parts);
        }
        for (int i = 0; i < 3 && !model.definitions.isEmpty() && x.count(4) > 0; i++) {
            int a = random.nextInt(9) == 0 ? random.nextInt() : random.nextInt(12) - 2;
            int b = random.nextInt(9) == 0 ? random.nextInt() : random.nextInt(12) - 2;
            int calls = random.nextInt(3) == 0 ? 1 + random.nextInt(300) : 300;
            int outcome = model.run(a, b, calls);
            seen[outcome]++;
            for (int order : new int[] {0, 1, random.nextInt()}) {
                String call = "run(" + a + ", " + b + ", " + calls + ", " + order + ") behind " + text;
                Check.equal(call, x.run(a, b, calls, order), outcome);
                Check.equal("value of " + call, x.value(), model.value);
                Check.counts(x, "of " + call, model.counts[0], model.counts[1], model.counts[2], model.counts[3]);
            }
        }
    }
}
