import java.util.ArrayList;
import java.util.List;
import java.util.function.ToLongFunction;

/** A run of calls on a new object, made anew as often as it is wanted: an object is promised for 512 calls alone. */
final class Made {
    private final List<ToLongFunction<ExitFalls>> calls = new ArrayList<>();

    /** An object with this TEXT. */
    static Made of(String text) {
        return new Made().then(x -> Check.read(x, text));
    }

    static Made empty() {
        return new Made();
    }

    Made then(ToLongFunction<ExitFalls> call) {
        calls.add(call);
        return this;
    }

    /** Bytes that stay on the TAPE, which must be empty. */
    Made fed(String bytes) {
        return then(x -> {
            Check.feed(x, bytes.getBytes());
            return 0;
        });
    }

    ExitFalls object() {
        ExitFalls x = new ExitFalls();
        for (ToLongFunction<ExitFalls> call : calls) {
            call.applyAsLong(x);
        }
        return x;
    }
}
