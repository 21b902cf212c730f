/** Makes a call in a scene, and looks at every byte of the memory and of the row afterwards. */
final class Look {
    private static final int MEMORY_LOOKS = 4097;
    private static final int ALL_LOOKS = MEMORY_LOOKS + 513;
    /** So few that, with the calls that make the scene, no object gets more than 512. */
    private static final int LOOKS_OF_ONE = 380;

    /** What is done with a bank; the answer of its last call. */
    interface Deed {
        Object on(Bank x);
    }

    private final Due due;

    Look(Due due) {
        this.due = due;
    }

    void unchanged(String call, Scene scene, Deed deed, Object answer) {
        changed(call, scene, deed, answer, scene.state());
    }

    void changed(String call, Scene scene, Deed deed, Object answer, State want) {
        String name = call + " with " + scene.state().size() + " in the row";
        for (int from = 0; from < ALL_LOOKS; from += LOOKS_OF_ONE) {
            Bank x = scene.bank();
            due.is(name, deed.on(x), answer);
            due.is(name + ", then size()", x.size(), want.size());
            for (int i = from; i < Math.min(from + LOOKS_OF_ONE, ALL_LOOKS); i++) {
                lookAt(i, name, x, want);
            }
        }
    }

    private void lookAt(int i, String name, Bank x, State want) {
        if (i < MEMORY_LOOKS) {
            due.is(name + ", then at(" + i + ")", x.at(i), want.at(i));
        } else {
            int k = i - MEMORY_LOOKS;
            due.is(name + ", then rowAt(" + k + ")", x.rowAt(k), want.rowAt(k));
        }
    }
}
