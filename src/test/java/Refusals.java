/**
 * Calls that a desk refuses: each must throw the exception that is due, and when all have been made the desk must
 * answer, then and later, as one that was made alike and on which they were not tried.
 */
final class Refusals {
    interface Recipe {
        void make(Desk desk);
    }

    interface Call {
        void on(Desk desk);
    }

    private final Check check;
    private final String promise;
    private final Desk tried = new Desk();
    private final Desk untouched = new Desk();

    Refusals(Check check, String promise, Recipe recipe) {
        this.check = check;
        this.promise = promise + ": ";
        recipe.make(tried);
        recipe.make(untouched);
    }

    void illegalArgument(String call, Call made) {
        check.illegalArgument(promise + call, () -> answer(made));
    }

    void illegalState(String call, Call made) {
        check.illegalState(promise + call, () -> answer(made));
    }

    void outOfBounds(String call, Call made) {
        check.outOfBounds(promise + call, () -> answer(made));
    }

    void unsupported(String call, Call made) {
        check.unsupported(promise + call, () -> answer(made));
    }

    private long answer(Call made) {
        made.on(tried);
        return 0;
    }

    void changedNothing() {
        check.alike(promise + "refused calls change nothing", State.of(tried), State.of(untouched));
        check.alike(promise + "refused calls change nothing of what comes later", State.later(tried),
                State.later(untouched));
    }
}
