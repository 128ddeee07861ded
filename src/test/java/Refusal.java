import java.util.function.Supplier;

/** Makes a call on one of two like objects: if it does not change the object, they stay alike. */
final class Refusal {
    interface Call {
        long on(MonthPage x);
    }

    private Refusal() {
    }

    /** The call answers this, and neither the page nor the states nor the text change. */
    static void unchanged(Due due, String name, Supplier<MonthPage> make, Call call, long want) {
        MonthPage x = make.get();
        due.is(name, call.on(x), want);
        due.are(name + ", then all the rest", Pages.whole(x), Pages.whole(make.get()));
    }
}
