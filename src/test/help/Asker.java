import java.util.Arrays;

/** Asks an object and the model about one net, and compares; the object is a new one before its 512 calls are used. */
final class Asker {
    private static final int MOST_CALLS = 460;

    final int points;
    final int lines;
    final int parts;
    final int sides;
    final long symmetries;
    private final String text;
    private final Model model = new Model();
    private FactorNets x;
    private int calls;

    Asker(String text) {
        this.text = text;
        this.model.tape.append(text);
        if (this.model.read() < 1) {
            throw new IllegalStateException("no net: " + text);
        }
        this.x = Texts.of(text);
        this.points = this.model.net.length;
        this.lines = (int) this.model.answer("count", 1);
        this.parts = (int) this.model.answer("count", 3);
        this.sides = (int) this.model.answer("count", 4);
        this.symmetries = this.model.answer("allSymmetries");
    }

    void ask(String name, long... numbers) {
        calls++;
        if (calls > MOST_CALLS) {
            x = Texts.of(text);
            calls = 1;
        }
        long want = model.answer(name, numbers);
        if (want != Model.UNKNOWN) {
            Checks.due(name + Arrays.toString(numbers) + " of " + text, Calls.make(x, name, numbers), want);
        }
    }

    void askOut() {
        ask("tell");
        Checks.dueText("tell() of " + text, Texts.out(x), model.out);
        calls += 2 + model.out.length() * 2;
    }
}
