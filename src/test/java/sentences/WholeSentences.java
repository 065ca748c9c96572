/** What the document says of the whole: what it is, what is not promised. */
final class WholeSentences extends Sentences {
    static void all() {
        whatItIs();
        notPromised();
    }

    private static void whatItIs() {
        at("What it is");
        plain("Symmetric association schemes on a few points. Each two points have a relation; the class tells whether "
                + "the relations form an association scheme (and shows the first violation), and computes intersection "
                + "numbers, integer eigenvalues with their multiplicities, dual eigenvalues, Krein parameters, "
                + "P-polynomial and Q-polynomial orders, fusion schemes, distributions of codes and their transforms, "
                + "the linear programming bound, and largest codes. It also makes some known schemes, sieves the "
                + "parameters of strongly regular graphs, and executes commands from a text that can be undone.");
        says("An object is used for at most 512 calls after it has been made; what later calls answer is free.", () -> {
            Run errors = new Run();
            for (int i = 1; i <= 508; i++) {
                errors.due("told(7)", -2);
            }
            errors.due("told(0)", 508).due("told(1)", 0).due("sort(3, 2)", 1).due("told(0)", 508);
            Run changes = new Run();
            for (int i = 1; i <= 250; i++) {
                changes.due("points(13)", i == 1 ? 4 : 13).due("pair(12, 11, 5)", 1);
            }
            changes.due("told(6)", 6).due("told(5)", 5);
            changes.due("undo()", 5).due("undo()", 4).due("undo()", 3).due("undo()", 2).due("undo()", 1);
            changes.due("undo()", 0).due("undo()", -3).due("told(4)", 13).due("told(5)", 5).due("sort(11, 12)", 5);
        });
    }

    private static void notPromised() {
        at("Not promised");
        plain("How the state is held inside the object is free, as are the speed of each call, the text of toString and "
                + "the behaviour of equals and hashCode. Use of one object from several threads at once is not promised "
                + "to be safe. Nothing is promised beyond the answers and state changes described above, and nothing "
                + "about an object after its 512th call.");
    }
}
