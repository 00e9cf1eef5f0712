import java.util.Random;

/** Texts told at random, whole and broken, against TextModel: faults, places, and what doing them comes to. */
public final class TextsTest {
    private static final int TEXTS = 10000;

    public static void main(String[] args) {
        Due due = new Due();
        int[] seen = new int[6];
        int[] broke = new int[5];
        for (int seed = 0; seed < TEXTS; seed++) {
            String text = new Texts(new Random(seed)).text();
            TextModel model = TextModel.read(text);
            MarbleBath bath = new MarbleBath();
            due.is("read of " + text, Due.read(bath, text), model.fault);
            due.is("place of " + text, bath.place(), model.place);
            due.is("count(0) of " + text, bath.count(0), model.fault == 0 ? model.patterns.size() : 0);
            seen[model.fault]++;
            if (model.fault == 0) {
                doAll(due, text, model, bath, new Random(seed), broke);
            }
        }
        System.out.println("faults seen " + java.util.Arrays.toString(seen) + ", breaks "
                + java.util.Arrays.toString(broke));
        for (int fault = 0; fault < 6; fault++) {
            due.is("texts with fault " + fault + " are enough", seen[fault] >= 50 ? 1 : 0, 1);
        }
        for (int why = 0; why < 5; why++) {
            due.is("runs with break " + why + " are enough", broke[why] >= 50 ? 1 : 0, 1);
        }
        due.end("TextsTest");
    }

    private static void doAll(Due due, String text, TextModel model, MarbleBath bath, Random random, int[] broke) {
        BathModel second = new BathModel();
        second.book = model;
        for (int i = 0; i < 12; i++) {
            int pattern = random.nextInt(model.patterns.size() + 1);
            int a = random.nextInt(4) == 0 ? random.nextInt() : random.nextInt(9) - 3;
            int b = random.nextInt(4) == 0 ? random.nextInt() : random.nextInt(9) - 3;
            String call = "run(" + pattern + ", " + a + ", " + b + ") of " + text;
            int want = second.run(pattern, a, b);
            due.is(call, bath.run(pattern, a, b), want);
            due.is("broke of " + call, bath.broke(), second.brokeWhy);
            due.is("where of " + call, bath.where(), second.brokePlace);
            due.is("parameters of " + call, bath.parameters(pattern), second.parameters(pattern));
            if (want == -2) {
                broke[second.brokeWhy]++;
            } else if (want > 0) {
                broke[0]++;
            }
        }
        due.is("facts of " + text, bath.count(1), second.facts.size());
        // no more than some fifty of them, so that the object is asked 512 calls at most
        int step = 1 + second.facts.size() / 50;
        for (int fact = random.nextInt(step); fact < second.facts.size(); fact += step) {
            due.is("kind(" + fact + ") of " + text, bath.kind(fact), second.kind(fact));
            for (int i = 0; i < 6; i++) {
                due.is("number(" + fact + ", " + i + ") of " + text, bath.number(fact, i), second.number(fact, i));
            }
        }
    }
}
